/** A call, so that calls can stand in tables. */
interface Act {
    int on(EchoValley x);
}
