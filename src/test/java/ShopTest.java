public final class ShopTest {
    public static void main(String[] args) {
        FlyingChange x = new FlyingChange();
        Due.is("posts", x.total(0), 1);
        Due.end();
    }
}
