/** Placeholder main so that the first landing has a test of its own; PromiseTest takes over. */
final class SmokeTest {
    public static void main(String[] args) {
        Check check = new Check("smoke");
        check.due("guilts(-1)", new NeverInLine().guilts(-1), 0);
        check.end();
    }
}
