public final class SmokeTest {
    public static void main(String[] args) {
        LedgerFiles x = new LedgerFiles(128, 4, 1);
        if (x.format() != 67 || x.mount() != 0 || x.check() != 0) {
            System.out.println("a new file system is not as due");
            System.exit(1);
        }
    }
}
