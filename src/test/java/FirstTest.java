/** Promise 1: a new object. */
public final class FirstTest {
    public static void main(String[] args) {
        StandTable x = new StandTable();
        Check.due("status()", x.status(), 0);
        Check.due("top()", x.top(), 0);
        Check.due("bottom()", x.bottom(), 1);
        Check.close("FirstTest");
    }
}
