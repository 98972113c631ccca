/** A row of calls that brings a new object somewhere. */
interface Way {
    void go(CleanNets x);

    default Way then(Way next) {
        return x -> {
            go(x);
            next.go(x);
        };
    }
}
