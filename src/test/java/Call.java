/** One call, and what it answers. */
interface Call {
    int of(FoldedMonths x);
}
