/** A run of calls on a new diary. */
interface Story {
    void tell(FoldedMonths x);
}
