public final class ConstantsTest {
    public static void main(String[] args) {
        if (DotConsole.REFUSED != -1 || DotConsole.FULL != -2 || DotConsole.BAD != -3) {
            System.out.println("a constant is not as due");
            System.exit(1);
        }
    }
}
