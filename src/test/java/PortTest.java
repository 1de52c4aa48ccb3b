public final class PortTest {
    public static void main(String[] args) {
        Check check = new Check("port");
        WingPort x = new WingPort();
        check.due("count(0)", x.count(0), 0);
        check.end();
    }
}
