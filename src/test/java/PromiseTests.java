public final class PromiseTests {
    public static void main(String[] args) {
        if (new TripleDesk().program() != 1) System.exit(1);
    }
}
