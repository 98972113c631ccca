/** One call, and what it answered. */
interface Ask {
    int of(CleanNets x);
}
